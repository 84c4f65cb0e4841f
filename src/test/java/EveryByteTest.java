/** Texts of which each byte in turn is every one of the 256, or is put in, or is the last: read as the slow law reads them. */
public final class EveryByteTest {
    private static final Due DUE = new Due("EveryByteTest");
    private static final String[] TEXTS = {
        "w12+[a](k<3&!(a=4)|1=1);n(1=1)",
        "s99999*[t-[o%2]]/7(((((!p>o)))));c1(h=d)",
        "n(!!!!!1=r&(((([k]<0)))))",
        "f[[[[[[5]]]]]]((((((k=0))))))",
        "n(1=1);n(1=1);n(1=1);n(1=1);n(1=1);n(1=1);n(1=1);n(1=1);n(1=1);n(1=1);n(1=1);n(1=1);n(1=1);d1(s=1)"};
    private static final int TEXTS_OF_ONE = 60;

    private static BellHours palace = new BellHours();
    private static int read = 0;

    public static void main(String[] args) {
        for (String text : TEXTS) {
            DUE.is(text, 0, SlowLaw.faultOf(text));
            for (int at = 0; at <= text.length(); at++) {
                String ahead = text.substring(0, at);
                alike(ahead.isEmpty() ? "!" : ahead);
                for (int sign = 0; sign < 256; sign++) {
                    alike(ahead + (char) sign + text.substring(at));
                    if (at < text.length()) {
                        alike(ahead + (char) sign + text.substring(at + 1));
                    }
                }
                if (at < text.length()) {
                    alike(ahead + text.substring(at + 1));
                }
            }
        }
        DUE.end();
    }

    private static void alike(String text) {
        // An object answers for 512 calls alone.
        if (read % TEXTS_OF_ONE == 0) {
            palace = new BellHours();
        }
        read++;
        int fault = SlowLaw.faultOf(text);
        DUE.is("law " + text, fault != 0 ? fault : new SlowLaw(text).clauses(), Due.law(palace, read % 2, text));
    }
}
