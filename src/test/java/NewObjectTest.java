/** Promise 1: a new object has an empty text and no program; and the face has nothing more. */
public final class NewObjectTest {
    public static void main(String[] args) {
        empty();
        apart();
        face();
        Check.close("NewObjectTest");
    }

    private static void empty() {
        TermMachine x = new TermMachine();
        for (int what = 0; what <= 8; what++) {
            Check.due("new: about(" + what + ")", x.about(what), 0);
        }
        Check.tells("new", x);
        Check.badState("new: begin(0)", () -> x.begin(0) ? 1 : 0);
        Check.badState("new: run(1)", () -> x.run(1));
        Check.due("new: read()", x.read(), -1);
        Check.due("new: text", x.text(7, 1), 1);
        Check.due("NONE", TermMachine.NONE, -1);
    }

    private static void apart() {
        TermMachine one = Code.ran(Code.number(5), 100);
        TermMachine other = new TermMachine();
        Check.due("another one: about(1)", other.about(1), 0);
        Check.due("another one: about(8)", other.about(8), 0);
        Check.tells("the first one", one, 4, 0, 5);
    }

    private static void face() {
        int methods = 0;
        for (java.lang.reflect.Method m : TermMachine.class.getDeclaredMethods()) {
            boolean hidden = java.lang.reflect.Modifier.isPrivate(m.getModifiers());
            methods += hidden ? 0 : 1;
        }
        Check.due("methods of the face", methods, 6);
        int fields = 0;
        for (java.lang.reflect.Field f : TermMachine.class.getDeclaredFields()) {
            boolean hidden = java.lang.reflect.Modifier.isPrivate(f.getModifiers());
            fields += hidden ? 0 : 1;
        }
        Check.due("fields of the face", fields, 1);
        int modifiers = TermMachine.class.getModifiers();
        Check.due("public and final", modifiers,
            java.lang.reflect.Modifier.PUBLIC | java.lang.reflect.Modifier.FINAL);
    }
}
