import java.util.Random;

/** Texts by draws, cut at each sign and with each sign changed: the fault is the model's, whatever is wrong. */
public final class FaultsTest {
    private static final Check CHECK = new Check();
    private static final int TEXTS = Integer.getInteger("texts", 24);
    private static final String SIGNS = ";( )x5-!";

    private static void read(String told, String text, boolean asWeek) {
        MistCanton x = new MistCanton();
        Model model = new Model();
        if (asWeek) {
            Check.feed(x, told);
            x.canton();
            model.read(told, "canton");
        }
        Check.feed(x, text);
        int got = asWeek ? x.week() : x.canton();
        CHECK.due("'" + text + "'", Integer.toString(got), model.read(text, asWeek ? "week" : "canton"));
    }

    private static void cutAndChanged(String told, String text, boolean asWeek) {
        for (int at = 0; at <= text.length(); at++) {
            read(told, text.substring(0, at), asWeek);
        }
        for (int at = 0; at < text.length(); at++) {
            char sign = SIGNS.charAt(at % SIGNS.length());
            read(told, text.substring(0, at) + sign + text.substring(at + 1), asWeek);
            read(told, text.substring(0, at) + text.substring(at + 1), asWeek);
            read(told, text.substring(0, at) + text.charAt(at) + text.substring(at), asWeek);
        }
    }

    public static void main(String[] args) {
        Random draws = new Random(5);
        Texts texts = new Texts(draws);
        for (int i = 0; i < TEXTS && CHECK.isFine(); i++) {
            CHECK.at("text " + i);
            String told = texts.canton();
            cutAndChanged("", told, false);
            cutAndChanged(told, texts.week(), true);
            cutAndChanged("", "goes " + texts.expression(0) + ";", false);
        }
        CHECK.end();
    }
}
