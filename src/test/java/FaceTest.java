import java.lang.reflect.Member;
import java.lang.reflect.Modifier;
import java.util.Arrays;
import java.util.List;
import java.util.TreeSet;
import java.util.stream.Stream;

/** The public face is the document's, whole and with nothing besides. */
public final class FaceTest {
    private static final List<String> FACE = List.of(
            "public RenameMerge(int)",
            "public static final int RenameMerge.NONE",
            "public static final int RenameMerge.SPLIT",
            "public boolean RenameMerge.put(int,int,int,boolean)",
            "public boolean RenameMerge.drop(int,int)",
            "public boolean RenameMerge.copy(int,int)",
            "public boolean RenameMerge.adopt(int)",
            "public boolean RenameMerge.style(int)",
            "public int RenameMerge.merge()",
            "public int RenameMerge.size(int)",
            "public int RenameMerge.kind(int,int)",
            "public int RenameMerge.length(int,int)",
            "public int RenameMerge.line(int,int,int)",
            "public int RenameMerge.conflict(int)",
            "public int RenameMerge.staged(int,int)",
            "public int RenameMerge.stagedLine(int,int,int)",
            "public int RenameMerge.renamed(int,int)",
            "public int RenameMerge.newPlace(int,int)",
            "public int RenameMerge.stands(int,int)",
            "public int RenameMerge.score(int,int,int)");

    public static void main(String[] args) {
        Check check = new Check();
        TreeSet<String> seen = new TreeSet<>();
        TreeSet<String> publicNames = new TreeSet<>();
        members(RenameMerge.class).filter(member -> !Modifier.isPrivate(member.getModifiers())).forEach(member -> {
            seen.add(member.toString());
            publicNames.add(member.getName());
        });
        check.due("the members that are not private", seen, new TreeSet<>(FACE));
        check.due("NONE", RenameMerge.NONE, -1);
        check.due("SPLIT", RenameMerge.SPLIT, -2);
        check.due("the class is final", Modifier.isFinal(RenameMerge.class.getModifiers()), true);
        publicNames.remove("RenameMerge");
        for (Class<?> inner : RenameMerge.class.getDeclaredClasses()) {
            check.due(inner + " is static", Modifier.isStatic(inner.getModifiers()), true);
            check.due(inner + " is not public", Modifier.isPublic(inner.getModifiers()), false);
            Arrays.stream(inner.getDeclaredMethods()).forEach(method ->
                    check.due(method + " bears a public name", publicNames.contains(method.getName()), false));
        }
        Arrays.stream(RenameMerge.class.getDeclaredMethods())
                .filter(method -> Modifier.isPrivate(method.getModifiers()))
                .forEach(method ->
                        check.due(method + " bears a public name", publicNames.contains(method.getName()), false));
        check.end();
    }

    private static Stream<Member> members(Class<?> type) {
        return Stream.of(type.getDeclaredConstructors(), type.getDeclaredFields(), type.getDeclaredMethods())
                .flatMap(Arrays::stream).map(member -> (Member) member);
    }
}
