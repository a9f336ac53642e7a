/** Texts of programs that lie at the edges of what the document takes. */
final class Texts {
    private Texts() {
    }

    /** So many empty METHODS. */
    static String methods(int many) {
        return "on 0{}".repeat(many);
    }

    /** A text filled up with spaces. */
    static String filled(String text, int bytes) {
        return text + " ".repeat(bytes - text.length());
    }

    /** A METHOD whose blocks lie within one another, so many with its own one; the innermost one holds the steps. */
    static String nested(int blocks, String steps) {
        return "on 0{" + "cut 1{".repeat(blocks - 1) + steps + "}".repeat(blocks);
    }

    /**
     * METHOD 0 has 256 PAIRS, one for each set of KINDS that are cut. It calls others with so many KINDS lent
     * again, which have a PAIR for each set of the KINDS that are left.
     */
    static String crowd(int... lent) {
        StringBuilder out = new StringBuilder("on 0{");
        for (int kind = 0; kind < 8; kind++) {
            out.append("either{cut ").append(kind).append("{call 0;}}or{}");
        }
        for (int i = 0; i < lent.length; i++) {
            for (int kind = 0; kind < lent[i]; kind++) {
                out.append("lend ").append(kind).append(" 9{");
            }
            out.append("call ").append(i + 1).append(";").append("}".repeat(lent[i]));
        }
        return out.append("}").append(methods(lent.length)).toString();
    }
}
