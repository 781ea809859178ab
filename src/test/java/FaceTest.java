import java.lang.reflect.Constructor;
import java.lang.reflect.Field;
import java.lang.reflect.Member;
import java.lang.reflect.Method;
import java.lang.reflect.Modifier;
import java.util.Set;
import java.util.TreeSet;

/** The public face of the document, and the first and the fifth rule of LANGUAGE.md on members. */
public final class FaceTest {
    private static final String INDEX = " throws java.lang.IndexOutOfBoundsException";
    private static final String ARGUMENT = "java.lang.IllegalArgumentException";
    private static final String STATE = "java.lang.IllegalStateException";

    public static void main(String[] args) {
        theClassIsPublicAndFinal();
        theMethodsAreThoseOfTheDocument();
        nothingElseCanBeSeen();
        onlyConstantsAreStatic();
        Check.end("FaceTest");
    }

    private static Set<String> face() {
        Set<String> face = new TreeSet<>();
        face.add("int setOutside(int,int) throws " + ARGUMENT);
        face.add("int outside(int) throws " + ARGUMENT);
        face.add("int setPrice(int,int,int) throws " + ARGUMENT);
        face.add("int addProduct(int,int,int,int) throws " + ARGUMENT + "," + STATE);
        face.add("int addRoom(int,int,int,int) throws " + ARGUMENT + "," + STATE);
        face.add("int setRoom(int,int,boolean)" + INDEX + "," + ARGUMENT);
        face.add("int defrost(int)" + INDEX + "," + STATE);
        face.add("int room(int,int)" + INDEX);
        face.add("int reason(int,int)" + INDEX);
        face.add("int arrive(int,int,int)" + INDEX + "," + ARGUMENT + "," + STATE);
        face.add("int move(int,int)" + INDEX + "," + STATE);
        face.add("int pallet(int,int)" + INDEX);
        face.add("int bestRoom(int)" + INDEX);
        face.add("int ship(int,int,int)" + INDEX + "," + ARGUMENT);
        face.add("int clear()");
        face.add("int stock(int,boolean)" + INDEX);
        face.add("int count(int)" + INDEX);
        face.add("int tick(int) throws " + ARGUMENT);
        face.add("int foretell(int,int)" + INDEX + "," + ARGUMENT);
        face.add("int lasts(int)" + INDEX + "," + STATE);
        face.add("int now()");
        face.add("long paid()");
        face.add("double freshness(int)" + INDEX);
        face.add("long digest()");
        return face;
    }

    private static void theClassIsPublicAndFinal() {
        Check.due("modifiers of ColdStore", ColdStore.class.getModifiers(), Modifier.PUBLIC | Modifier.FINAL);
        Constructor<?>[] constructors = ColdStore.class.getDeclaredConstructors();
        Check.due("number of constructors", constructors.length, 1);
        Check.dueText("constructor", constructors[0].toString(), "public ColdStore()");
    }

    private static void theMethodsAreThoseOfTheDocument() {
        Set<String> found = new TreeSet<>();
        Set<String> names = new TreeSet<>();
        for (Method method : ColdStore.class.getDeclaredMethods()) {
            if (Modifier.isPublic(method.getModifiers())) {
                found.add(method.toString().replace("public ", "").replace("ColdStore.", ""));
                names.add(method.getName());
            }
        }
        Check.dueText("public methods", found.toString(), face().toString());
        for (Method method : ColdStore.class.getDeclaredMethods()) {
            boolean isDoubled = !Modifier.isPublic(method.getModifiers()) && names.contains(method.getName());
            Check.dueText("private namesakes of " + method.getName(), isDoubled ? "some" : "none", "none");
        }
    }

    private static void mustBePrivate(Member member) {
        if (!member.isSynthetic() && !Modifier.isPublic(member.getModifiers())) {
            Check.due(member + " is private", Modifier.isPrivate(member.getModifiers()) ? 1 : 0, 1);
        }
    }

    private static void nothingElseCanBeSeen() {
        for (Method method : ColdStore.class.getDeclaredMethods()) {
            mustBePrivate(method);
        }
        for (Field field : ColdStore.class.getDeclaredFields()) {
            mustBePrivate(field);
            Check.due(field + " is public", Modifier.isPublic(field.getModifiers()) ? 1 : 0, 0);
        }
        int inside = 0;
        for (Class<?> own : ColdStore.class.getDeclaredClasses()) {
            inside++;
            Check.due(own + " is static", Modifier.isStatic(own.getModifiers()) ? 1 : 0, 1);
            Check.due(own + " is seen", own.getModifiers() & (Modifier.PUBLIC | Modifier.PROTECTED), 0);
        }
        Check.due("more than eleven classes inside", inside > 11 ? 1 : 0, 0);
    }

    private static void onlyConstantsAreStatic() {
        mustBeConstant(ColdStore.class);
        for (Class<?> own : ColdStore.class.getDeclaredClasses()) {
            mustBeConstant(own);
        }
    }

    private static void mustBeConstant(Class<?> type) {
        int fields = 0;
        for (Field field : type.getDeclaredFields()) {
            if (Modifier.isStatic(field.getModifiers())) {
                Check.due(field + " is final", Modifier.isFinal(field.getModifiers()) ? 1 : 0, 1);
            } else {
                fields++;
            }
        }
        Check.due("more than twenty fields in " + type, fields > 20 ? 1 : 0, 0);
    }
}
