import java.nio.ByteBuffer;
import java.nio.charset.StandardCharsets;

/** Two districts, three projects, four voters: who is funded, who pays, and what a change would do. */
public final class Example {
    private static final String TEXT = """
            district north 120; district south 60;
            project park 50 north; project bridge 60 north south; project pool 40 south;
            voter 1 in north for park bridge;
            voter 1 in north for park;
            voter 2 in north south for bridge pool;
            voter 1 in south for pool;
            """;

    public static void main(String[] args) {
        ParticipatoryBudget x = new ParticipatoryBudget();
        System.out.println("statements: " + load(x, TEXT));
        System.out.println("projects funded by EQUAL: " + Integer.toBinaryString(x.funded(ParticipatoryBudget.EQUAL)));
        int pool = x.projectNamed(letters("pool"));
        System.out.println("price of the pool: " + x.priceOf(pool));
        System.out.println("paid for it by voter 2: " + x.paidBy(pool, 2));
        System.out.println("if it cost 61: " + Integer.toBinaryString(x.fundedWithCost(pool, 61)));
        x.setSetting(ParticipatoryBudget.COMPLETION, 1);
        System.out.println("with COMPLETION 1: " + Integer.toBinaryString(x.funded(ParticipatoryBudget.EQUAL)));
        System.out.println("changes left behind undo: " + x.undo());
        System.out.println("a wrong text: " + load(x, "district east 10; project lake 0 east;") + " at " + x.errorPosition());
        System.out.println("districts that there still are: " + x.districtCount());
    }

    /** The text goes in by portions of 20 bytes, filled up with zeros that load then leaves out. */
    private static int load(ParticipatoryBudget x, String text) {
        ByteBuffer bytes = ByteBuffer.allocate((text.length() + 19) / 20 * 20);
        bytes.put(text.getBytes(StandardCharsets.ISO_8859_1)).rewind();
        while (bytes.hasRemaining()) {
            x.feed(bytes.getInt(), bytes.getInt(), bytes.getInt(), bytes.getInt(), bytes.getInt());
        }
        return x.load(text.length());
    }

    /** A name as districtNamed and projectNamed take it: six groups of 5 bits, a is 1, z is 26. */
    private static int letters(String name) {
        int packed = 0;
        for (int i = 0; i < 6; i++) {
            packed = packed << 5 | (i < name.length() ? name.charAt(i) - 'a' + 1 : 0);
        }
        return packed;
    }
}
