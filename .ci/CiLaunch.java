import java.io.File;
import java.lang.reflect.InvocationTargetException;
import java.lang.reflect.Method;
import java.lang.reflect.Modifier;
import java.util.ArrayList;
import java.util.List;

/** Runs the test in a folder of classes: a file may have another name than the class with its main. */
public final class CiLaunch {
    public static void main(String[] args) throws ReflectiveOperationException {
        Method main = mainOf(new File(args[0]), args[1]);
        if (main == null) {
            System.out.println(args[1] + " has no main method, or several and none under its own name");
            System.exit(1);
        }
        try {
            main.setAccessible(true);
            main.invoke(null, (Object) new String[0]);
        } catch (InvocationTargetException e) {
            e.getCause().printStackTrace();
            System.exit(1);
        }
    }

    private static Method mainOf(File folder, String test) throws ReflectiveOperationException {
        List<Method> found = new ArrayList<>();
        for (String file : folder.list()) {
            String name = file.replaceAll("\\.class$", "");
            if (file.endsWith(".class") && !name.equals("ColdStore")) {
                for (Method method : Class.forName(name, false, CiLaunch.class.getClassLoader()).getDeclaredMethods()) {
                    if (isMain(method)) {
                        if (name.equals(test)) {
                            return method;
                        }
                        found.add(method);
                    }
                }
            }
        }
        return found.size() == 1 ? found.get(0) : null;
    }

    private static boolean isMain(Method method) {
        int modifiers = method.getModifiers();
        Class<?>[] parameters = method.getParameterTypes();
        return method.getName().equals("main") && method.getReturnType() == void.class
                && Modifier.isPublic(modifiers) && Modifier.isStatic(modifiers)
                && parameters.length == 1 && parameters[0] == String[].class;
    }
}
