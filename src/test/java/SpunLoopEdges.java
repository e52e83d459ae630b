import java.io.IOException;
import java.nio.file.Path;

/** All tests of boundaries; with the argument "open" it also tells which words of the document none bears. */
public final class SpunLoopEdges {
    public static void main(String[] args) throws IOException {
        Edges[] parts = {new RowEdges(), new TextEdges(), new LoopEdges(), new RunEdges(), new SoughtEdges(), new AskedEdges()};
        for (Edges part : parts) {
            part.all();
        }
        Edges.holdAgainst(Path.of("..", "shared", "DOC.md"), args.length > 0 && args[0].equals("open"));
        if (Edges.told() != 0) {
            System.exit(1);
        }
    }
}
