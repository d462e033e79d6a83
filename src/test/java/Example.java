/** The program that README.md shows; ReadmeTest holds the two together. */
public class Example {
    public static void main(String[] args) {
        DrownedPost post = new DrownedPost();
        post.addBin(30, 2);
        int one = post.addDrowned(40, 1, 3);
        int letter = post.bring(one, 3, 20);
        System.out.println("gone down in 12 hours: " + post.pass(12));
        System.out.println("state of the letter: " + post.letter(letter, 3));
        try {
            post.letter(7, 3);
        } catch (IndexOutOfBoundsException e) {
            System.out.println("there is no letter 7");
        }
    }
}
