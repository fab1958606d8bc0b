import java.util.ArrayList;
import java.util.Arrays;
import java.util.List;

/** A call, told by its name and its arguments. */
record Call(String name, String... words) {
    /** How many calls an object answers, by the document. */
    static final int MOST = 512;

    static Call of(Object... parts) {
        String[] words = new String[parts.length - 1];
        for (int i = 0; i < words.length; i++) {
            words[i] = String.valueOf(parts[i + 1]);
        }
        return new Call((String) parts[0], words);
    }

    /** The calls that type a text. */
    static List<Call> typing(String text) {
        List<Call> calls = new ArrayList<>();
        calls.add(of("wipe"));
        for (char sign : text.toCharArray()) {
            calls.add(of("type", (int) sign));
        }
        return calls;
    }

    String on(Object house) {
        return Calls.answer(house, name, words);
    }

    static boolean isRefusal(String answer) {
        return answer.startsWith("throws.");
    }

    @Override
    public String toString() {
        String told = Arrays.toString(words);
        return name + "(" + told.substring(1, told.length() - 1) + ")";
    }
}
