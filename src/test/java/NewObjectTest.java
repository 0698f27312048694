/** Promise 1. */
public final class NewObjectTest {
    public static void main(String[] args) {
        Keyterrace x = new Keyterrace();
        Check.due("version()", x.version(), 0);
        Check.due("why()", x.why(), Keyterrace.NONE);
        Check.due("parts()", x.parts(), 1);
        Check.due("begin(0, false)", x.begin(0, false), 0);
        Check.due("range of all", x.range(0, Keyterrace.ABSENT, Keyterrace.ABSENT, true), 0);
        Check.end();
    }
}
