/**
 * Every sign behind every beginning of some TOWNS, and in every place of them: where DeepWearer finds the
 * FAULT, and where Model's pattern does.
 */
public final class FaultTest {
    private static final String[] TOWNS = {
        "sink 12 !(p=1&t<23|(k>4))&!!v=0|w>99",
        "float 9 !(!(l<3&p=0)|k=1);reach 7",
        "tide 10;lift 0;sink 0 ((((t=5))))|!!!!p>0",
        "lift 1;lift 2;lift 3;lift 4;lift 5;lift 6;lift 7;lift 8;tide 9;reach 10",
        "float 99 (!(!p=0&(t=1)|v=2)&w=3)",
    };

    public static void main(String[] args) {
        for (String town : TOWNS) {
            looksAt(town);
            for (int place = 0; place < town.length(); place++) {
                String begins = town.substring(0, place);
                looksAt(begins);
                looksAt(begins + town.substring(place + 1));
                for (char sign = 0; sign <= 127; sign++) {
                    looksAt(begins + sign);
                    looksAt(begins + sign + town.substring(place + 1));
                    looksAt(begins + sign + town.substring(place));
                }
            }
            for (char sign = 0; sign <= 127; sign++) {
                looksAt(town + sign);
            }
        }
        Due.end();
    }

    private static void looksAt(String text) {
        DeepWearer x = new DeepWearer();
        for (int i = 0; i < text.length(); i++) {
            x.feed(text.charAt(i));
        }
        int fault = Model.Town.fault(text);
        Due.is("town() of " + text, x.town(), fault < 0 ? 0 : -10 - fault);
    }
}
